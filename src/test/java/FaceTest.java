import java.lang.reflect.Constructor;
import java.lang.reflect.Field;
import java.lang.reflect.Method;
import java.lang.reflect.Modifier;
import java.util.TreeSet;

/** The public face, and promise 1. */
public final class FaceTest {
    private static final String[] FACE = {
        "int feed(int,int,int,int,int)", "boolean end(int)", "int tale()", "int law()", "int fault()",
        "int place(int,int)", "int thing(int,int)", "int road(int,int)", "int brother(int,int)",
        "int girl(int)", "int rule(int,int)", "boolean fits(int,int)", "int go(int)", "int delay(int)",
        "int pay(int)", "int take(int)", "int lay(int)", "int free(int)", "int soonest(int)",
        "int reached(int)", "int spared(int)", "int locked(boolean)", "int stands(int,boolean)",
        "int needed()", "int far(int,int)", "int turnBack(int)", "int meet(int,int,boolean)",
        "int surest(int,int)", "int gate(int)", "int plates(int)", "int locks(boolean)",
        "int shirts(int,int,long,boolean)", "int sign(int)", "int log(int,int)", "boolean undo()",
        "void image()", "boolean back()", "int count(int)"};

    public static void main(String[] args) {
        TreeSet<String> want = new TreeSet<>(java.util.Arrays.asList(FACE));
        TreeSet<String> got = new TreeSet<>();
        TreeSet<String> publicNames = new TreeSet<>();
        for (Method m : GlassHill.class.getDeclaredMethods()) {
            if (Modifier.isPublic(m.getModifiers())) {
                got.add(written(m));
                publicNames.add(m.getName());
            } else {
                Checks.due(m + " is private", true, Modifier.isPrivate(m.getModifiers()));
            }
        }
        Checks.due("the face is " + got, true, got.equals(want));
        for (Method m : GlassHill.class.getDeclaredMethods()) {
            if (!Modifier.isPublic(m.getModifiers())) {
                Checks.due(m + " bears no public name", false, publicNames.contains(m.getName()));
            }
        }
        for (Field f : GlassHill.class.getDeclaredFields()) {
            boolean none = f.getName().equals("NONE");
            Checks.due(f + " is private or NONE", true, none || Modifier.isPrivate(f.getModifiers()));
        }
        for (Constructor<?> c : GlassHill.class.getDeclaredConstructors()) {
            Checks.due(c + " is public", true, Modifier.isPublic(c.getModifiers()));
        }
        Checks.due("final", true, Modifier.isFinal(GlassHill.class.getModifiers()));
        Checks.due("NONE", -1, GlassHill.NONE);
        newObject();
        Checks.finish("FaceTest");
    }

    private static String written(Method m) {
        StringBuilder text = new StringBuilder(m.getReturnType() + " " + m.getName() + "(");
        for (int i = 0; i < m.getParameterCount(); i++) {
            text.append(i == 0 ? "" : ",").append(m.getParameterTypes()[i]);
        }
        return text + ")";
    }

    private static void newObject() {
        GlassHill x = new GlassHill();
        int[] counts = {0, 0, 0, 0, 0, 0, -1, 0, 0, 0, 0, 0, 0};
        for (int what = 0; what < counts.length; what++) {
            Checks.due("new: count(" + what + ")", counts[what], x.count(what));
        }
        Checks.due("new: count(13)", -1, x.count(13));
        Checks.due("new: count(-1)", -1, x.count(-1));
        Checks.due("new: fault", -1, x.fault());
        Checks.due("new: needed", 0, x.needed());
        Checks.due("new: gate(-1)", 0, x.gate(-1));
        Checks.due("new: gate(0)", -1, x.gate(0));
        Checks.due("new: log(0, 0)", -1, x.log(0, 0));
        Checks.due("new: undo", false, x.undo());
        Checks.due("new: back", false, x.back());
        Checks.due("new: end(0)", true, x.end(0));
        Checks.due("new: end(1)", false, x.end(1));
        Checks.illegalState("new: girl(0)", () -> x.girl(0));
        Checks.noSuchElement("new: girl(5)", () -> x.girl(5));
        Checks.illegalState("new: soonest(0)", () -> x.soonest(0));
        Checks.illegalState("new: spared(0)", () -> x.spared(0));
        Checks.illegalState("new: locked", () -> x.locked(true));
        Checks.illegalState("new: delay(1)", () -> x.delay(1));
        Checks.illegalArgument("new: delay(0)", () -> x.delay(0));
        Checks.illegalState("new: turnBack(0)", () -> x.turnBack(0));
        Checks.illegalArgument("new: turnBack(-1)", () -> x.turnBack(-1));
        Checks.outOfBounds("new: place", () -> x.place(0, 9));
        Checks.outOfBounds("new: thing", () -> x.thing(0, 9));
        Checks.outOfBounds("new: road", () -> x.road(0, 9));
        Checks.outOfBounds("new: brother", () -> x.brother(0, 9));
        Checks.outOfBounds("new: rule", () -> x.rule(0, 9));
        Checks.outOfBounds("new: fits", () -> x.fits(0, 0) ? 1 : 0);
        Checks.outOfBounds("new: go", () -> x.go(0));
        Checks.outOfBounds("new: pay", () -> x.pay(0));
        Checks.outOfBounds("new: take", () -> x.take(0));
        Checks.outOfBounds("new: lay", () -> x.lay(0));
        Checks.outOfBounds("new: free", () -> x.free(0));
        Checks.outOfBounds("new: reached", () -> x.reached(0));
        Checks.outOfBounds("new: stands", () -> x.stands(0, true));
        Checks.outOfBounds("new: far", () -> x.far(0, 0));
        Checks.outOfBounds("new: meet", () -> x.meet(0, 0, true));
        Checks.outOfBounds("new: surest", () -> x.surest(0, 0));
        Checks.outOfBounds("new: sign", () -> x.sign(0));
    }
}
