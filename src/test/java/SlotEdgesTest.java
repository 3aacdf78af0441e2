/** The boundary cases of promises 29 and 30. */
final class SlotEdgesTest {
    private static final Expect EXPECT = new Expect("edges of the slots");
    private static final int UNKNOWN = -1, LATE = -3;

    public static void main(String[] args) {
        promise29FirstAndLastSlot();
        promise29TheMinuteAtFirstAndLate();
        promise29InPlaceOfWhatIsThere();
        promise29NoAct();
        promise30FirstAndLastSlot();
        promise30EmptySlots();
        promise30StaysSaved();
        promise30NothingCanBeUndone();
        promise30FourteenActsAfterIt();
        promise30NoPartOfTheState();
        promise30SiteDiscardsBoth();
        promise30SiteThatIsLateDiscardsNone();
        EXPECT.finish();
    }

    private static void due(String call, long got, long want) {
        EXPECT.due(call, got, want);
    }

    private static void promise29FirstAndLastSlot() {
        EXPECT.part("promise 29: slot 0 or 1");
        ChargePosts x = Worlds.small();
        due("keep(-1)", x.keep(-1), UNKNOWN);
        due("keep(0)", x.keep(0), 0);
        due("keep(1)", x.keep(1), 0);
        due("keep(2)", x.keep(2), UNKNOWN);
    }

    private static void promise29TheMinuteAtFirstAndLate() {
        EXPECT.part("promise 29: the minute");
        ChargePosts x = new ChargePosts();
        due("keep(0) of a new object", x.keep(0), 0);
        for (int i = 1; i <= 20; i++) {
            x.minute(99);
        }
        due("keep(1) after 20 * 99 minutes", x.keep(1), 1980);
        due("again(0)", x.again(0), 0);
        due("minute", x.about(4), 0);
        due("again(1)", x.again(1), 1980);
        due("minute", x.about(4), 1980);
    }

    private static void promise29InPlaceOfWhatIsThere() {
        EXPECT.part("promise 29: in place of what is saved there, and not in the other slot");
        ChargePosts x = new ChargePosts();
        x.limit(1);
        x.keep(0);
        x.limit(2);
        x.keep(1);
        x.limit(3);
        x.keep(0);
        x.again(1);
        due("limit of slot 1", x.about(2), 2);
        x.again(0);
        due("limit of slot 0", x.about(2), 3);
    }

    private static void promise29NoAct() {
        EXPECT.part("promise 29: no act");
        ChargePosts x = Worlds.small();
        x.keep(0);
        x.keep(0);
        due("acts", x.about(9), 1);
        due("undo()", x.undo(), 0);
        due("again(0), which undo() did not change", x.again(0), 0);
        due("car that was kept", x.post(0, 1), 0);
    }

    private static void promise30FirstAndLastSlot() {
        EXPECT.part("promise 30: slot 0 or 1");
        ChargePosts x = Worlds.small();
        x.keep(0);
        x.keep(1);
        due("again(-1)", x.again(-1), UNKNOWN);
        due("again(0)", x.again(0), 0);
        due("again(1)", x.again(1), 0);
        due("again(2)", x.again(2), UNKNOWN);
    }

    private static void promise30EmptySlots() {
        EXPECT.part("promise 30: nothing is saved in it");
        for (int slot = 0; slot < 2; slot++) {
            ChargePosts x = Worlds.small();
            due("again(" + slot + ") of none", x.again(slot), LATE);
            x.keep(1 - slot);
            due("again(" + slot + ") when the other is saved", x.again(slot), LATE);
            due("acts", x.about(9), 1);
            due("again() of the other", x.again(1 - slot), 0);
            x.keep(slot);
            due("again(" + slot + ") when it is saved", x.again(slot), 0);
        }
    }

    private static void promise30StaysSaved() {
        EXPECT.part("promise 30: it stays saved there, as it was");
        ChargePosts x = Expect.ready("F999p9c99900");
        x.minute(2);
        x.keep(1);
        for (int i = 0; i < 3; i++) {
            x.minute(50);
            x.pull(0);
            x.limit(i);
            due("again(1)", x.again(1), 2);
            due("meter", x.post(0, 7), 18);
            due("rest", x.car(0, 4), 81);
            due("state", x.post(0, 2), 3);
            due("silence", x.post(0, 4), 2);
            due("limit", x.about(2), 99);
        }
    }

    private static void promise30NothingCanBeUndone() {
        EXPECT.part("promise 30: nothing can be undone then");
        ChargePosts x = new ChargePosts();
        for (int v = 1; v <= 14; v++) {
            x.limit(v);
        }
        x.keep(0);
        due("acts before", x.about(9), 14);
        due("again(0) of the same state", x.again(0), 0);
        due("acts", x.about(9), 0);
        due("undo()", x.undo(), LATE);
        due("limit", x.about(2), 14);
    }

    private static void promise30FourteenActsAfterIt() {
        EXPECT.part("promise 30: 14 acts after it can be undone, and they lead back to it");
        ChargePosts x = new ChargePosts();
        for (int v = 1; v <= 9; v++) {
            x.limit(v);
        }
        x.keep(0);
        x.limit(10);
        x.again(0);
        for (int v = 11; v <= 24; v++) {
            x.limit(v);
        }
        for (int left = 13; left >= 0; left--) {
            due("undo()", x.undo(), left);
            due("limit", x.about(2), left == 0 ? 9 : left + 10);
        }
        due("undo() of what was before again()", x.undo(), LATE);
    }

    private static void promise30NoPartOfTheState() {
        EXPECT.part("promise 30: the text, the observations and the start number stay");
        ChargePosts x = Worlds.small();
        x.keep(0);
        x.write('p');
        x.see(0, 0, 0);
        x.seed(6);
        x.limit(1);
        due("again(0)", x.again(0), 0);
        due("limit", x.about(2), 5);
        due("patience", x.about(3), 1);
        due("observations", x.about(10), 1);
        due("length of the text", x.about(11), 13);
        due("fault()", x.fault(), 13);
        due("start number", x.seed(0), 6);
    }

    private static void promise30SiteDiscardsBoth() {
        EXPECT.part("promise 30: nothing is saved after site()");
        ChargePosts x = Worlds.small();
        x.keep(0);
        x.keep(1);
        x.site();
        due("again(0)", x.again(0), LATE);
        due("again(1)", x.again(1), LATE);
        x.keep(1);
        due("again(0)", x.again(0), LATE);
        due("again(1)", x.again(1), 0);
    }

    private static void promise30SiteThatIsLateDiscardsNone() {
        EXPECT.part("promise 30: what is saved stays when site() is LATE");
        ChargePosts x = Worlds.small();
        x.minute(1);
        x.keep(0);
        x.keep(1);
        x.write('x');
        due("site()", x.site(), LATE);
        due("again(0)", x.again(0), 1);
        due("again(1)", x.again(1), 1);
        due("car", x.post(0, 1), 0);
    }
}
