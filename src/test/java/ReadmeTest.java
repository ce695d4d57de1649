/** The calls of README.md's example answer what it tells beside them. */
public final class ReadmeTest {
    private ReadmeTest() {
    }

    public static void main(String[] args) {
        Check.within("README's example: ");
        Goods goods = new Goods();
        goods.type("01animals;-0101horse;-0102donkey;02meat;").due(4, goods.read());
        goods.due(10102, goods.row(2, 0)).due(101, goods.row(2, 3)).due(1, goods.find(10101));
        goods.due(1, goods.note(101, 1, 10102));
        goods.type("donkey.animals").due(3, goods.search());
        goods.due(101, goods.found(0, 0)).due(4, goods.found(0, 1));
        goods.due(10102, goods.found(1, 0)).due(3, goods.found(1, 1));
        goods.due(true, goods.edition(1));
        goods.type("01horses;02meat;").due(2, goods.read());
        goods.due(true, goods.link(0, 10101, 1, 101));
        goods.due(1, goods.became(0, 10101, 1)).due(101, goods.linked(0, 10101, 1, 0));
        goods.due(2, goods.lost(0, 1));
        goods.type("03a;03b;").due(Check.STATE, goods.read());
        goods.due(4, goods.failure(0)).due(4, goods.failure(1));
        Check.end();
    }
}
