/** Promises 36 to 39: acts undone, the image, counts. */
public final class UndoTest {
    public static void main(String[] args) {
        eachAct();
        twelve();
        forgotten();
        image();
        imageOfTimes();
        Checks.finish("UndoTest");
    }

    private static GlassHill some() {
        return Checks.told("place;place;road 0 1 long 3;thing 1 worth 5 at 0;thing 3 worth 6 at 0;keeper 0 lock 1 1 takes has 2 worth 7;"
            + "brother 1 lock 2 2 way 4 due 5");
    }

    private static void eachAct() {
        GlassHill x = some();
        Checks.due("nothing to undo", false, x.undo());
        String[] ahead = new String[8];
        int n = 0;
        ahead[n++] = Checks.all(x);
        x.take(0);
        ahead[n++] = Checks.all(x);
        x.take(1);
        ahead[n++] = Checks.all(x);
        x.pay(0);
        ahead[n++] = Checks.all(x);
        x.delay(5);
        ahead[n++] = Checks.all(x);
        x.go(0);
        ahead[n++] = Checks.all(x);
        x.free(0);
        ahead[n++] = Checks.all(x);
        x.lay(1);
        Checks.due("acts", 7, x.count(12));
        Checks.illegalState("a refused one is none", () -> x.free(0));
        Checks.due("acts", 7, x.count(12));
        while (n > 0) {
            Checks.due("undo", true, x.undo());
            n--;
            Checks.same("undone to " + n, ahead[n], x);
        }
        Checks.due("none left", false, x.undo());
        Checks.same("nothing happens", ahead[0], x);
    }

    private static void twelve() {
        GlassHill x = Checks.told("place");
        for (int i = 1; i <= 20; i++) {
            x.delay(i == 1 ? 48 : 1);
            Checks.due("acts", Math.min(i, 12), x.count(12));
        }
        for (int i = 0; i < 12; i++) {
            Checks.due("undo", true, x.undo());
            Checks.due("time", 66 - i, x.girl(1));
        }
        Checks.due("no thirteenth", false, x.undo());
        Checks.due("time", 55, x.girl(1));
        x.delay(2);
        x.delay(3);
        x.undo();
        Checks.due("time", 57, x.girl(1));
        x.delay(4);
        x.undo();
        x.undo();
        Checks.due("time", 55, x.girl(1));
        Checks.due("none", false, x.undo());
    }

    private static void forgotten() {
        GlassHill x = some();
        x.take(0);
        Checks.wrongTale(x, "plaice", 0);
        Checks.wrongLaw(x, "barn", 0);
        Checks.due("wrong texts change nothing", 1, x.count(12));
        x.image();
        Checks.due("an image changes nothing", 1, x.count(12));
        Checks.law(x, "");
        Checks.due("a law", 0, x.count(12));
        Checks.due("undo", false, x.undo());
        x.lay(0);
        Checks.tale(x, "");
        Checks.due("a tale", 0, x.count(12));
        x.take(1);
        Checks.due("back", true, x.back());
        Checks.due("going back", 0, x.count(12));
        Checks.due("undo", false, x.undo());
        GlassHill y = Checks.told("place");
        for (int i = 1; i < 12; i++) {
            Checks.tale(y, "");
        }
        y.delay(1);
        Checks.tape(y, "place");
        Checks.unsupported("a 13th", y::tale);
        Checks.due("a refused text", 1, y.count(12));
        Checks.tape(y, "x");
        Checks.illegalArgument("a wrong one", y::tale);
        y.undo();
        Checks.due("fault is not undone", 0, y.fault());
        y.delay(1);
        y.feed(0, 0, 0, 0, 0);
        y.undo();
        Checks.due("the tape is not undone", 40, y.feed(0, 0, 0, 0, 0));
    }

    /** Undone and done anew at another time with another thing: the image still tells the first ones. */
    private static void imageOfTimes() {
        GlassHill x = Checks.told("place;place;road 0 1 long 1;keeper 0 lock 0 0;keeper 1 lock 0 0;thing 0 worth 1 at 0;thing 0 worth 1 at 0;"
            + "brother 0 lock 0 0 way 1 due 1");
        x.take(0);
        x.take(1);
        x.delay(3);
        x.pay(0);
        x.free(0);
        x.image();
        x.undo();
        x.undo();
        x.delay(4);
        x.free(0);
        x.pay(1);
        Checks.due("freed at", 7, x.brother(0, 5));
        Checks.due("log", 1, x.log(0, 1));
        x.go(0);
        x.pay(0);
        Checks.due("log", 8, x.log(1, 2));
        x.back();
        Checks.due("freed at", 3, x.brother(0, 5));
        Checks.due("log", 0, x.log(0, 0));
        Checks.due("log", 0, x.log(0, 1));
        Checks.due("log", 3, x.log(0, 2));
        Checks.due("log", -1, x.log(1, 2));
        x.undo();
        x.go(0);
        x.pay(1);
        Checks.due("log", 1, x.log(1, 0));
        Checks.due("log", 1, x.log(1, 1));
        Checks.due("log", 4, x.log(1, 2));
    }

    private static void image() {
        GlassHill x = new GlassHill();
        Checks.due("none was kept", false, x.back());
        x.image();
        Checks.tale(x, "place;place;road 0 1 long 3;thing 1 worth 5 at 0");
        Checks.law(x, "slow 2");
        x.take(0);
        x.go(0);
        Checks.due("back to nothing", true, x.back());
        Checks.due("places", 0, x.count(0));
        Checks.due("texts", 0, x.count(5));
        Checks.due("no law", -1, x.count(6));
        Checks.due("time", 0, x.count(7));
        Checks.illegalState("no girl", () -> x.girl(0));
        Checks.tale(x, "place;place;road 0 1 long 3;thing 1 worth 5 at 0;keeper 1 lock 1 1 takes has 3 worth 3;brother 1 lock 0 0 way 1 due 1");
        Checks.law(x, "slow 2 if carried > 0");
        x.take(0);
        x.image();
        x.delay(1);
        x.image();
        x.undo();
        Checks.due("undone", 0, x.girl(1));
        x.back();
        Checks.due("the latest image", 1, x.girl(1));
        String kept = Checks.all(x);
        x.go(0);
        x.pay(0);
        x.free(0);
        Checks.law(x, "bar");
        Checks.tale(x, "place;keeper 0 lock 1 1;thing 0 worth 1 at 0");
        Checks.tape(x, "oh");
        Checks.illegalArgument("wrong", x::tale);
        x.feed(0, 0, 0, 0, 0);
        Checks.due("back", true, x.back());
        Checks.same("gone back", kept, x);
        Checks.due("the law is back", 5, x.rule(0, 1));
        Checks.due("fault stays", 0, x.fault());
        Checks.due("the tape stays", 40, x.feed(0, 0, 0, 0, 0));
        x.go(0);
        x.pay(0);
        Checks.due("back once more", true, x.back());
        Checks.same("gone back again", kept, x);
        Checks.tale(x, "thing 7 worth 7 at 1");
        Checks.due("things told anew", 3, x.count(1));
        Checks.due("lies", 4, x.place(1, 8));
    }
}
