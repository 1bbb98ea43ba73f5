/** The example of README.md, call by call: it must not tell what is not so. */
public final class ReadmeTest {
    public static void main(String[] args) {
        CutShears shears = new CutShears();
        int slab = shears.want(30, 32, 1);
        Due.is("slab", slab, 0);
        int rod = shears.want(21, 21, 5);
        Due.is("rod", rod, 1);
        shears.bar(103, 3);
        shears.crop(4, 5);
        Due.is("pieces()", shears.pieces(), 3);
        Due.is("loss()", shears.loss(), 0);
        Due.is("cut()", shears.cut(), 0);
        shears.known(90);
        Due.is("piece(2, 0)", shears.piece(2, 0), rod);
        Due.is("piece(1, 1)", shears.piece(1, 1), 34);
        Due.is("piece(1, 2)", shears.piece(1, 2), 30);
        Due.is("blade(1, 17, 0)", shears.blade(1, 17, 0), 3);
        Due.is("blade(1, 17, 1)", shears.blade(1, 17, 1), 765);
        Due.is("at(0)", shears.at(0), 0);
        Due.is("sum(slab)", shears.sum(slab), 30);
        Due.is("bundle(slab, 1)", shears.bundle(slab, 1), 1);
        Due.is("cutAt(0, 2)", shears.cutAt(0, 2), -2);
        Due.is("cutAt(0, 3)", shears.cutAt(0, 3), 0);
        Due.is("side(0)", shears.side(0), -1);
        shears.bed(20, 120);
        Due.end();
    }
}
