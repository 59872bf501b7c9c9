/** Each promise of the document: ordinary calls, the edges that it names, and wrong arguments. */
public final class PromisesTest {
    private static final String SQUARE = "POLYGON((0 0,10 0,10 10,0 10,0 0))";
    private static final int GREATEST = 1073741823;

    public static void main(String[] args) {
        newObject();
        feed();
        Desk.finish();
    }

    private static void newObject() {
        LandBase base = new LandBase();
        Desk.due("BAD", LandBase.BAD, -1);
        Desk.due("live", base.live(), 0);
        Desk.due("isDown", base.isDown(), false);
        Desk.due("isOpen", base.isOpen(), false);
        Desk.due("outputs", base.outputs(), 0);
        Desk.due("wrong", base.wrong(), -1);
        Desk.due("used", base.used(), 0);
        Desk.due("saves", base.saves(), 0);
        Desk.due("flaws", base.flaws(), 0);
        Desk.due("idAt", base.idAt(0), -1);
        Desk.due("out", base.out(0), 0);
        Desk.due("run", base.run(), 0);
        Desk.due("recover", base.recover(), 0);
    }

    private static void feed() {
        LandBase base = new LandBase();
        for (int i = 1; i <= 100; i++) {
            Desk.due("feed " + i, base.feed(0, 0, 0, 0, 0), 40 * i);
        }
        Desk.due("feed above 4000", base.feed(0, 0, 0, 0, 0), -1);
        Desk.due("end(40) at 4000", base.end(40), 4000);
        Desk.due("end(39) at 4000", base.end(39), 3999);
        Desk.due("feed at 3999", base.feed(0, 0, 0, 0, 0), -1);
    }
}
