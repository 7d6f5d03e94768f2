/** Promise 1, and what each call answers before there is a text. */
public final class NewObjectTest {
    public static void main(String[] args) {
        ConflictPlaces x = new ConflictPlaces();
        for (int what = 0; what < 8; what++) {
            Check.due("told(" + what + ")", x.told(what), 0);
        }
        Check.due("out(0)", x.out(0), Check.NONE);
        Check.due("fits()", x.fits(), Check.STATE);
        Check.due("search(1)", x.search(1), Check.STATE);
        Check.due("search(2000)", x.search(2000), Check.STATE);
        Check.due("search(0)", x.search(0), Check.BAD);
        Check.due("changes()", x.changes(), Check.STATE);
        Check.due("node(0, 0)", x.node(0, 0), Check.BAD);
        Check.due("rule(0)", x.rule(0), Check.BAD);
        Check.due("conflict(0, 0)", x.conflict(0, 0), Check.BAD);
        Check.due("set(0, -1)", x.set(0, -1), Check.BAD);
        Check.due("less(0, 0)", x.less(0, 0), Check.BAD);
        Check.due("type(0)", x.type(0), Check.BAD);
        Check.due("binder(11)", x.binder(11), Check.BAD);
        Check.due("without(0, 0)", x.without(0, 0), Check.BAD);
        Check.due("change(0, 0)", x.change(0, 0), Check.BAD);
        Check.due("mended(0, 11)", x.mended(0, 11), Check.BAD);
        constants();
        objectsAreApart();
        Check.end();
    }

    private static void constants() {
        Check.due("BAD", ConflictPlaces.BAD, -1);
        Check.due("STATE", ConflictPlaces.STATE, -2);
        Check.due("NO", ConflictPlaces.NO, -3);
        Check.due("FULL", ConflictPlaces.FULL, -4);
        Check.due("NONE", ConflictPlaces.NONE, -9);
    }

    private static void objectsAreApart() {
        ConflictPlaces one = Check.of("f = 1 + \"a\"");
        one.search(2000);
        one.without(1, 0);
        ConflictPlaces other = new ConflictPlaces();
        Check.due("fits() of another object", other.fits(), Check.STATE);
        Check.due("out(0) of another object", other.out(0), Check.NONE);
        Check.due("read of another object", Check.read(other, "g x = x"), 2);
        Check.due("told(3) of the first object", one.told(3), 6);
        Check.due("told(5) of the first object", one.told(5), 1);
    }
}
