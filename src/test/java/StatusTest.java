/** Promises 25 and 26: count, status. */
public final class StatusTest {
    public static void main(String[] args) {
        counts();
        status();
        Check.finish();
    }

    private static void counts() {
        SailCargo x = new SailCargo();
        x.winds(4, 4, 4, 4, 0);
        for (int i = 0; i < 2; i++) {
            x.load(1, 1);
        }
        for (int i = 0; i < 5; i++) {
            x.slot(0, 0, 1);
        }
        x.free(1);
        x.free(1);
        x.free(4);
        Check.type(x, "pay 1;pay 2;pay 3;pay 4");
        x.contract();
        for (int i = 0; i < 6; i++) {
            x.leg(1);
        }
        Check.type(x, "late 10");
        int[] want = {1, 2, 5, 4, 6, 7, 3};
        for (int what = 0; what < want.length; what++) {
            Check.same("count " + what, x.count(what), want[what]);
        }
        Check.same("count -1", x.count(-1), -1);
        Check.same("count 7", x.count(7), -1);
        Check.same("count", x.count(Integer.MIN_VALUE), -1);
    }

    private static void status() {
        SailCargo x = new SailCargo();
        Check.same("ahead of any", x.status(), 0);
        x.load(0, 0);
        quietCalls(x);
        Check.same("other calls leave it", x.status(), -1);
        x.load(1, 1);
        Check.same("load", x.status(), 0);
        x.apart(0, 1, true);
        quietCalls(x);
        Check.same("apart", x.status(), -2);
        x.sails(0, 0);
        Check.same("sails", x.status(), 0);
        x.apart(0, 0, true);
        Check.same("apart", x.status(), -3);
        x.engine(5);
        Check.same("engine", x.status(), 0);
        Check.type(x, "x");
        x.contract();
        quietCalls(x);
        Check.same("contract", x.status(), -6);
        x.winds(4, 4, 4, 4, 0);
        Check.same("winds", x.status(), 0);
        x.free(0);
        Check.same("free", x.status(), -2);
        x.berths(0, 3);
        Check.same("berths", x.status(), 0);
        x.slot(9, 0, 1);
        Check.same("slot", x.status(), -2);
        x.slot(0, 0, 1);
        Check.same("slot", x.status(), 0);
        x.aboard(0, 0, 0);
        Check.same("aboard", x.status(), -2);
        x.leg(5);
        Check.same("leg", x.status(), 0);
        x.berths(0, 0);
        Check.same("berths", x.status(), -1);
        x.aboard(0, 0, 0);
        Check.same("aboard", x.status(), 0);
    }

    /** None of these is a call that status() tells of, refused or not. */
    private static void quietCalls(SailCargo x) {
        x.weight(0, 0);
        x.weight(9, 9);
        x.luck(1, 1, 1, 1, 0);
        x.luck(-1, 1, 1, 1, 0);
        x.choice(1, 1, 1, 1, 1);
        x.choice(1, 0, 1, 1, 1);
        x.promise(1, 1, 1, 1);
        x.promise(1, 1, 1, 0);
        x.stow(10, 0);
        x.stow(-1, 0);
        x.of(0, 0);
        x.of(99, 0);
        x.feed(0, 0, 0, 0, 0);
        x.end(-1);
        x.end(0);
        x.fault();
        x.due(1, 1, 1);
        x.due(-1, 1, 1);
        x.part(0, 0);
        x.part(99, 0);
        x.smoke(0);
        x.smoke(99);
        x.count(0);
        x.count(99);
    }
}
