import java.util.LinkedHashMap;
import java.util.Map;
import java.util.NoSuchElementException;
import java.util.function.IntConsumer;
import java.util.function.IntSupplier;
import java.util.function.IntUnaryOperator;
import java.util.function.ToIntFunction;

/** For each promise of the document: ordinary inputs, the edges that it names, and wrong inputs. */
public final class PromiseTest {
    /** Numbers that are never there; 32 and its like would slip through a shift that wraps. */
    private static final int[] NOWHERE =
            {-1, 16, 31, 32, 33, 64, -32, -31, Integer.MIN_VALUE, Integer.MAX_VALUE};

    private static int wrong = 0;
    private static String promise = "";

    private static void fail(String text) {
        wrong++;
        System.out.println(promise + ": " + text);
    }

    private static void due(String call, int want, IntSupplier got) {
        try {
            int answer = got.getAsInt();
            if (answer != want) {
                fail(call + " answered " + answer + ", due is " + want);
            }
        } catch (RuntimeException e) {
            fail(call + " threw " + e + ", due is " + want);
        }
    }

    private static void due(String what, boolean want, boolean got) {
        if (want != got) {
            fail(what + " is " + got + ", due is " + want);
        }
    }

    private static void thrown(String call, Class<?> want, IntSupplier got) {
        try {
            fail(call + " answered " + got.getAsInt() + ", due is " + want.getSimpleName());
        } catch (RuntimeException e) {
            if (e.getClass() != want) {
                fail(call + " threw " + e + ", due is " + want.getSimpleName());
            }
        }
    }

    private static void missing(String call, IntSupplier got) {
        thrown(call, NoSuchElementException.class, got);
    }

    private static void outOfBounds(String call, IntSupplier got) {
        thrown(call, IllegalArgumentException.class, got);
    }

    private static void refused(String call, IntSupplier got) {
        thrown(call, IllegalStateException.class, got);
    }

    private static void missingFor(String call, IntUnaryOperator got) {
        for (int number : NOWHERE) {
            missing(call + " of " + number, () -> got.applyAsInt(number));
        }
    }

    private static boolean in(int set, int number) {
        return (set >> number & 1) != 0;
    }

    private static void each(int set, IntConsumer then) {
        for (int i = 0; i < 31; i++) {
            if (in(set, i)) {
                then.accept(i);
            }
        }
    }

    private static int asInt(boolean answer) {
        return answer ? 1 : 0;
    }

    private static void promise1() {
        promise = "promise 1, a new object";
        int[][] madeAndThere = {
            {0, 0, 0, 0}, {1, 1, 1, 1}, {3, 6, 7, 63}, {5, 9, 31, 511}, {6, 10, 63, 1023},
            {7, 11, 63, 1023}, {-1, -1, 0, 0}, {32, 33, 63, 1023},
            {Integer.MAX_VALUE, Integer.MAX_VALUE, 63, 1023},
            {Integer.MIN_VALUE, Integer.MIN_VALUE, 0, 0}, {-32, -31, 0, 0}, {2, 0, 3, 0}, {0, 2, 0, 3}};
        for (int[] row : madeAndThere) {
            RoleDesk x = new RoleDesk(row[0], row[1], 0);
            String made = "after new RoleDesk(" + row[0] + ", " + row[1] + ", 0) ";
            due(made + "there(0)", row[2], () -> x.there(0));
            due(made + "there(1)", row[3], () -> x.there(1));
            due(made + "there(2)", 0, () -> x.there(2));
            due(made + "there(3)", 0, () -> x.there(3));
            due(made + "there(4)", 0, () -> x.there(4));
        }
        RoleDesk bare = new RoleDesk(6, 10, 0);
        each(63, u -> due("rolesOf of a new user", 0, () -> bare.rolesOf(u, true)));
        each(63, u -> due("sessionsOf of a new user", 0, () -> bare.sessionsOf(u)));
        each(1023, r -> due("permissions of a new role", 0, () -> bare.permissions(r, true)));
        each(1023, r -> due("juniors of a new role", 1 << r, () -> bare.juniors(r)));
        for (int mode : new int[] {0, 2, 3, -1, Integer.MIN_VALUE, Integer.MAX_VALUE}) {
            RoleDesk x = new RoleDesk(1, 3, mode);
            due("mode " + mode + ": inherit(0, 1)", 1, () -> x.inherit(0, 1));
            due("mode " + mode + ": inherit(0, 2)", 2, () -> x.inherit(0, 2));
        }
        RoleDesk limited = new RoleDesk(1, 3, 1);
        due("mode 1: inherit(0, 1)", 1, () -> limited.inherit(0, 1));
        refused("mode 1: inherit(0, 2)", () -> limited.inherit(0, 2));
        RoleDesk other = new RoleDesk(1, 3, 0);
        due("another object is not touched: juniors(0)", 1, () -> other.juniors(0));
    }

    private static void promise2() {
        promise = "promise 2, addUser";
        RoleDesk x = new RoleDesk(0, 1, 0);
        for (int i = 0; i < 6; i++) {
            int u = i;
            due("addUser()", u, x::addUser);
            due("there(0)", (2 << u) - 1, () -> x.there(0));
        }
        refused("addUser() when full", x::addUser);
        x.assign(1, 0);
        x.open(1, 1);
        x.deleteUser(4);
        x.deleteUser(1);
        due("the least free number", 1, x::addUser);
        due("who is new is assigned nothing", 0, () -> x.rolesOf(1, true));
        due("who is new has no sessions", 0, () -> x.sessionsOf(1));
        due("the next free number", 4, x::addUser);
        refused("addUser() when full again", x::addUser);
    }

    private static void promise3() {
        promise = "promise 3, deleteUser";
        RoleDesk x = new RoleDesk(3, 2, 0);
        x.assign(0, 0);
        x.assign(1, 0);
        x.open(0, 1);
        x.open(1, 1);
        x.open(0, 0);
        missing("deleteUser(3)", () -> x.deleteUser(3));
        missing("deleteUser(6)", () -> x.deleteUser(6));
        missingFor("deleteUser", x::deleteUser);
        due("deleteUser(0)", 2, () -> x.deleteUser(0));
        due("there(0)", 6, () -> x.there(0));
        due("there(2)", 2, () -> x.there(2));
        due("usersOf(0, false)", 2, () -> x.usersOf(0, false));
        due("usersOf(0, true)", 2, () -> x.usersOf(0, true));
        due("active(1)", 1, () -> x.active(1));
        missing("deleteUser(0) again", () -> x.deleteUser(0));
        missing("active(0)", () -> x.active(0));
        due("deleteUser(2) without sessions", 0, () -> x.deleteUser(2));
        due("deleteUser(1)", 1, () -> x.deleteUser(1));
        due("there(0) in the end", 0, () -> x.there(0));

        RoleDesk y = new RoleDesk(1, 2, 0);
        y.assign(0, 0);
        y.assign(0, 1);
        y.open(0, 3);
        y.deleteUser(0);
        due("who is gone breaks no static set", 0, () -> y.addSet(0, 3, 2));
        due("a session that has ended breaks no dynamic set", 1, () -> y.addSet(1, 3, 2));
    }

    private static void promise4() {
        promise = "promise 4, addRole";
        RoleDesk x = new RoleDesk(1, 0, 0);
        for (int i = 0; i < 10; i++) {
            int r = i;
            due("addRole()", r, x::addRole);
            due("there(1)", (2 << r) - 1, () -> x.there(1));
        }
        refused("addRole() when full", x::addRole);
        x.inherit(3, 4);
        x.inherit(2, 3);
        x.grant(3, 7);
        x.assign(0, 3);
        x.open(0, 8);
        x.deleteRole(8);
        x.deleteRole(3);
        due("the least free number", 3, x::addRole);
        due("what is new inherits nothing", 8, () -> x.juniors(3));
        due("what is new is granted nothing", 0, () -> x.permissions(3, true));
        due("nobody is assigned what is new", 0, () -> x.usersOf(3, true));
        due("nothing inherits what is new", 4, () -> x.juniors(2));
        due("what is new is active nowhere", 0, () -> x.active(0));
        due("the next free number", 8, x::addRole);
        refused("addRole() when full again", x::addRole);
    }

    private static void promise5() {
        promise = "promise 5, deleteRole";
        RoleDesk x = new RoleDesk(2, 6, 0);
        x.inherit(0, 1);
        x.inherit(1, 2);
        x.grant(2, 3);
        x.assign(0, 0);
        x.assign(1, 1);
        x.assign(1, 2);
        x.open(0, 7);
        x.open(1, 6);
        missing("deleteRole(6)", () -> x.deleteRole(6));
        missing("deleteRole(10)", () -> x.deleteRole(10));
        missingFor("deleteRole", x::deleteRole);
        due("deleteRole(1)", 0, () -> x.deleteRole(1));
        due("there(1)", 61, () -> x.there(1));
        due("juniors(0)", 1, () -> x.juniors(0));
        due("rolesOf(0, true)", 1, () -> x.rolesOf(0, true));
        due("rolesOf(1, false)", 4, () -> x.rolesOf(1, false));
        due("active(0)", 1, () -> x.active(0));
        due("active(1): 2 is assigned by itself", 4, () -> x.active(1));
        due("permissions(0, true)", 0, () -> x.permissions(0, true));
        missing("deleteRole(1) again", () -> x.deleteRole(1));
        missing("juniors(1)", () -> x.juniors(1));

        RoleDesk y = new RoleDesk(2, 5, 0);
        y.addSet(0, 3, 2);
        y.addSet(1, 7, 2);
        y.addSet(1, 7, 3);
        y.addSet(0, 28, 3);
        due("two sets go", 2, () -> y.deleteRole(0));
        due("there(3)", 8, () -> y.there(3));
        due("there(4)", 2, () -> y.there(4));
        y.assign(0, 1);
        y.assign(0, 2);
        refused("the set that stays keeps the others apart", () -> y.open(0, 6));
        y.addRole();
        y.assign(1, 0);
        y.assign(1, 1);
        due("a new role is in no old set", 0, () -> y.open(1, 3));
        due("deleteRole(4)", 1, () -> y.deleteRole(4));
        due("there(3) in the end", 0, () -> y.there(3));
        due("a gone set does not count again", 1, () -> y.deleteRole(2));
    }

    private static void promise6() {
        promise = "promise 6, assign";
        RoleDesk x = new RoleDesk(2, 6, 0);
        due("assign(0, 0)", 1, () -> x.assign(0, 0));
        due("assign(0, 5)", 2, () -> x.assign(0, 5));
        due("rolesOf(0, false)", 33, () -> x.rolesOf(0, false));
        due("rolesOf(1, false)", 0, () -> x.rolesOf(1, false));
        refused("assign(0, 0) again", () -> x.assign(0, 0));
        missing("assign(2, 0)", () -> x.assign(2, 0));
        missing("assign(0, 6)", () -> x.assign(0, 6));
        missing("assign(6, 0)", () -> x.assign(6, 0));
        missing("assign(0, 10)", () -> x.assign(0, 10));
        missingFor("assign(_, 0)", u -> x.assign(u, 0));
        missingFor("assign(0, _)", r -> x.assign(0, r));

        x.inherit(1, 2);
        x.inherit(2, 3);
        due("assign(0, 1)", 3, () -> x.assign(0, 1));
        due("one may be assigned what one is authorised for", 4, () -> x.assign(0, 3));
        x.addSet(0, 24, 2);
        refused("assign(0, 4) would break a set", () -> x.assign(0, 4));
        due("assign(1, 4)", 1, () -> x.assign(1, 4));
        refused("assign(1, 1) would break it by inheritance", () -> x.assign(1, 1));
        due("assign(1, 5)", 2, () -> x.assign(1, 5));

        RoleDesk y = new RoleDesk(1, 4, 0);
        y.addSet(0, 15, 3);
        y.addSet(1, 15, 2);
        due("one of three", 1, () -> y.assign(0, 0));
        due("two of three; a dynamic set does not matter", 2, () -> y.assign(0, 1));
        refused("three of three", () -> y.assign(0, 2));
        y.inherit(2, 3);
        y.deassign(0, 1);
        refused("one role that brings two", () -> y.assign(0, 2));
        due("the other alone", 2, () -> y.assign(0, 3));
    }

    private static void promise7() {
        promise = "promise 7, deassign";
        RoleDesk x = new RoleDesk(2, 5, 0);
        x.inherit(0, 1);
        x.inherit(2, 1);
        x.assign(0, 0);
        x.assign(0, 2);
        x.assign(0, 3);
        x.assign(1, 0);
        x.open(0, 3);
        x.open(1, 3);
        x.open(0, 10);
        refused("deassign(0, 1): authorised, not assigned", () -> x.deassign(0, 1));
        refused("deassign(0, 4)", () -> x.deassign(0, 4));
        missing("deassign(2, 0)", () -> x.deassign(2, 0));
        missing("deassign(0, 5)", () -> x.deassign(0, 5));
        missingFor("deassign(_, 0)", u -> x.deassign(u, 0));
        missingFor("deassign(0, _)", r -> x.deassign(0, r));
        due("deassign(0, 0)", 2, () -> x.deassign(0, 0));
        due("rolesOf(0, false)", 12, () -> x.rolesOf(0, false));
        due("active(0): 1 stays by way of 2", 2, () -> x.active(0));
        due("active(1): another user's", 3, () -> x.active(1));
        due("deassign(0, 2)", 1, () -> x.deassign(0, 2));
        due("active(0) then", 0, () -> x.active(0));
        due("active(2) then", 8, () -> x.active(2));
        due("the sessions go on", 5, () -> x.sessionsOf(0));
        refused("deassign(0, 0) again", () -> x.deassign(0, 0));
        due("deassign(0, 3)", 0, () -> x.deassign(0, 3));

        RoleDesk y = new RoleDesk(1, 3, 0);
        y.inherit(0, 1);
        y.assign(0, 0);
        y.assign(0, 1);
        y.open(0, 2);
        due("deassign(0, 1) when a senior is assigned", 1, () -> y.deassign(0, 1));
        due("it stays active", 2, () -> y.active(0));
        y.deassign(0, 0);
        y.assign(0, 0);
        due("it does not come back by itself", 0, () -> y.active(0));
    }

    private static void promise8() {
        promise = "promise 8, grant";
        RoleDesk x = new RoleDesk(1, 2, 0);
        for (int i = 0; i < 16; i++) {
            int p = i;
            due("grant(0, " + p + ")", p + 1, () -> x.grant(0, p));
            due("permissions(0, false)", (2 << p) - 1, () -> x.permissions(0, false));
            refused("grant(0, " + p + ") again", () -> x.grant(0, p));
        }
        due("permissions(1, false)", 0, () -> x.permissions(1, false));
        x.inherit(1, 0);
        due("one may be granted what one has", 1, () -> x.grant(1, 3));
        missing("grant(2, 0)", () -> x.grant(2, 0));
        missing("grant(10, 0)", () -> x.grant(10, 0));
        missing("grant(2, 16)", () -> x.grant(2, 16));
        missingFor("grant(_, 0)", r -> x.grant(r, 0));
        missingFor("grant(1, _)", p -> x.grant(1, p));
    }

    private static void promise9() {
        promise = "promise 9, revoke";
        RoleDesk x = new RoleDesk(1, 2, 0);
        x.grant(0, 0);
        x.grant(0, 15);
        x.grant(1, 15);
        x.inherit(1, 0);
        refused("revoke(0, 1)", () -> x.revoke(0, 1));
        refused("revoke(1, 0): had, not granted", () -> x.revoke(1, 0));
        missing("revoke(2, 0)", () -> x.revoke(2, 0));
        missingFor("revoke(_, 0)", r -> x.revoke(r, 0));
        missingFor("revoke(0, _)", p -> x.revoke(0, p));
        due("revoke(0, 15)", 1, () -> x.revoke(0, 15));
        due("permissions(0, false)", 1, () -> x.permissions(0, false));
        due("permissions(1, false)", 1 << 15, () -> x.permissions(1, false));
        refused("revoke(0, 15) again", () -> x.revoke(0, 15));
        due("revoke(0, 0)", 0, () -> x.revoke(0, 0));
        due("permissions(1, true)", 1 << 15, () -> x.permissions(1, true));
    }

    private static void promise10() {
        promise = "promise 10, inherit";
        RoleDesk x = new RoleDesk(2, 6, 0);
        due("inherit(0, 1)", 1, () -> x.inherit(0, 1));
        due("inherit(1, 2)", 1, () -> x.inherit(1, 2));
        due("inherit(0, 2), which is junior already", 2, () -> x.inherit(0, 2));
        due("juniors(0)", 7, () -> x.juniors(0));
        refused("inherit(0, 1) again", () -> x.inherit(0, 1));
        refused("inherit(0, 0)", () -> x.inherit(0, 0));
        refused("inherit(1, 0)", () -> x.inherit(1, 0));
        refused("inherit(2, 0)", () -> x.inherit(2, 0));
        due("inherit(3, 1)", 1, () -> x.inherit(3, 1));
        missing("inherit(6, 0)", () -> x.inherit(6, 0));
        missing("inherit(0, 6)", () -> x.inherit(0, 6));
        missing("inherit(6, 6)", () -> x.inherit(6, 6));
        missingFor("inherit(_, 0)", r -> x.inherit(r, 0));
        missingFor("inherit(0, _)", q -> x.inherit(0, q));

        RoleDesk limited = new RoleDesk(1, 4, 1);
        due("limited: inherit(0, 1)", 1, () -> limited.inherit(0, 1));
        refused("limited: inherit(0, 2)", () -> limited.inherit(0, 2));
        due("limited: many may inherit one", 1, () -> limited.inherit(2, 1));
        due("limited: a junior may inherit", 1, () -> limited.inherit(1, 3));
        missing("limited: inherit(0, 4)", () -> limited.inherit(0, 4));
        limited.disinherit(0, 1);
        due("limited: after disinherit", 1, () -> limited.inherit(0, 2));

        RoleDesk y = new RoleDesk(2, 7, 0);
        y.inherit(0, 1);
        y.inherit(2, 3);
        y.assign(1, 0);
        y.assign(1, 4);
        y.addSet(0, 24, 2);
        y.addSet(1, 3, 2);
        refused("inherit(1, 2) brings 3 beside 4", () -> y.inherit(1, 2));
        refused("inherit(4, 3)", () -> y.inherit(4, 3));
        due("a role that nobody has may", 1, () -> y.inherit(5, 2));
        due("what breaks nothing may", 1, () -> y.inherit(4, 6));
        y.deassign(1, 4);
        due("inherit(1, 2) then", 1, () -> y.inherit(1, 2));
        due("rolesOf(1, true)", 15, () -> y.rolesOf(1, true));
        refused("now 4 may not come", () -> y.assign(1, 4));
    }

    private static void inheritanceIsDeep() {
        promise = "promises 10, 22 and 23, a chain of all roles";
        RoleDesk x = new RoleDesk(1, 10, 1);
        for (int i = 0; i < 9; i++) {
            int r = i;
            due("inherit down", 1, () -> x.inherit(r, r + 1));
        }
        x.grant(9, 15);
        due("juniors(0)", 1023, () -> x.juniors(0));
        due("permissions(0, true)", 1 << 15, () -> x.permissions(0, true));
        refused("inherit(9, 0)", () -> x.inherit(9, 0));
        RoleDesk y = new RoleDesk(1, 10, 1);
        for (int i = 9; i > 0; i--) {
            int r = i;
            due("inherit up", 1, () -> y.inherit(r, r - 1));
        }
        y.grant(0, 15);
        due("juniors(9)", 1023, () -> y.juniors(9));
        due("permissions(9, true)", 1 << 15, () -> y.permissions(9, true));
        refused("inherit(0, 9)", () -> y.inherit(0, 9));
        y.assign(0, 9);
        due("rolesOf(0, true)", 1023, () -> y.rolesOf(0, true));
        due("usersOf(0, true)", 1, () -> y.usersOf(0, true));
    }

    private static void promise11() {
        promise = "promise 11, disinherit";
        RoleDesk x = new RoleDesk(2, 5, 0);
        x.inherit(0, 1);
        x.inherit(0, 3);
        x.inherit(1, 2);
        x.inherit(3, 2);
        x.assign(0, 0);
        x.assign(1, 1);
        x.open(0, 15);
        x.open(1, 6);
        refused("disinherit(0, 2): senior, not inheriting", () -> x.disinherit(0, 2));
        refused("disinherit(1, 0)", () -> x.disinherit(1, 0));
        refused("disinherit(0, 0)", () -> x.disinherit(0, 0));
        missing("disinherit(5, 0)", () -> x.disinherit(5, 0));
        missing("disinherit(0, 5)", () -> x.disinherit(0, 5));
        missingFor("disinherit(_, 1)", r -> x.disinherit(r, 1));
        missingFor("disinherit(0, _)", q -> x.disinherit(0, q));
        due("disinherit(1, 2)", 0, () -> x.disinherit(1, 2));
        due("active(0): 2 stays by way of 3", 15, () -> x.active(0));
        due("active(1)", 2, () -> x.active(1));
        due("disinherit(0, 3)", 1, () -> x.disinherit(0, 3));
        due("active(0) then", 3, () -> x.active(0));
        due("juniors(0)", 3, () -> x.juniors(0));
        refused("disinherit(0, 3) again", () -> x.disinherit(0, 3));
        due("disinherit(0, 1)", 0, () -> x.disinherit(0, 1));
        due("the sessions go on", 3, () -> x.there(2));
    }

    private static void promise12() {
        promise = "promise 12, addSet";
        RoleDesk x = new RoleDesk(2, 6, 0);
        outOfBounds("addSet(2, 3, 2)", () -> x.addSet(2, 3, 2));
        outOfBounds("addSet(-1, 3, 2)", () -> x.addSet(-1, 3, 2));
        outOfBounds("addSet(MIN, 3, 2)", () -> x.addSet(Integer.MIN_VALUE, 3, 2));
        outOfBounds("addSet(0, 3, 1)", () -> x.addSet(0, 3, 1));
        outOfBounds("addSet(0, 3, 0)", () -> x.addSet(0, 3, 0));
        outOfBounds("addSet(0, 3, -1)", () -> x.addSet(0, 3, -1));
        outOfBounds("addSet(0, 3, MIN)", () -> x.addSet(0, 3, Integer.MIN_VALUE));
        outOfBounds("addSet(0, 3, MAX)", () -> x.addSet(0, 3, Integer.MAX_VALUE));
        outOfBounds("addSet(0, 7, 4)", () -> x.addSet(0, 7, 4));
        outOfBounds("addSet(0, 1, 2)", () -> x.addSet(0, 1, 2));
        outOfBounds("addSet(0, 0, 2)", () -> x.addSet(0, 0, 2));
        outOfBounds("addSet(0, 0, 0)", () -> x.addSet(0, 0, 0));
        missing("addSet(0, 64, 2)", () -> x.addSet(0, 64 + 3, 2));
        missing("addSet(0, 1024, 2)", () -> x.addSet(0, 1024 + 3, 2));
        missing("addSet(0, -1, 2)", () -> x.addSet(0, -1, 2));
        missing("addSet(0, MIN, 2)", () -> x.addSet(0, Integer.MIN_VALUE + 3, 2));
        missing("a role that is missing comes before a bad kind", () -> x.addSet(5, 64, 2));
        missing("a role that is missing comes before a bad n", () -> x.addSet(0, 64, 9));
        x.assign(0, 0);
        x.inherit(0, 1);
        x.inherit(1, 2);
        x.open(0, 3);
        refused("static, broken from the start", () -> x.addSet(0, 6, 2));
        refused("dynamic, broken from the start", () -> x.addSet(1, 3, 2));
        refused("static with 3 of 4", () -> x.addSet(0, 15, 3));
        due("authorised but not active", 0, () -> x.addSet(1, 6, 2));
        due("static with n of all", 1, () -> x.addSet(0, 15, 4));
        due("static", 2, () -> x.addSet(0, 24, 2));
        due("the same once more", 3, () -> x.addSet(0, 24, 2));
        refused("addSet when full", () -> x.addSet(0, 24, 2));
        outOfBounds("bounds come before FULL", () -> x.addSet(0, 24, 3));
        outOfBounds("the kind comes before FULL", () -> x.addSet(3, 24, 2));
        missing("missing comes before FULL", () -> x.addSet(0, 64, 2));
        due("there(3)", 14, () -> x.there(3));
        due("there(4)", 1, () -> x.there(4));
        x.deleteSet(1);
        x.deleteSet(0);
        outOfBounds("bounds come before broken", () -> x.addSet(0, 6, 3));
        due("the least free number", 0, () -> x.addSet(1, 48, 2));
        due("there(4) then", 1, () -> x.there(4));
        due("the next free number", 1, () -> x.addSet(1, 48, 2));
    }

    private static void promise13() {
        promise = "promise 13, deleteSet";
        RoleDesk x = new RoleDesk(1, 4, 0);
        missing("deleteSet(0) on a new desk", () -> x.deleteSet(0));
        x.addSet(0, 3, 2);
        x.addSet(1, 12, 2);
        x.addSet(0, 12, 2);
        missing("deleteSet(3)", () -> x.deleteSet(3));
        missing("deleteSet(4)", () -> x.deleteSet(4));
        missingFor("deleteSet", x::deleteSet);
        x.assign(0, 0);
        refused("assign(0, 1)", () -> x.assign(0, 1));
        due("deleteSet(0)", 2, () -> x.deleteSet(0));
        due("what it forbade is allowed then", 2, () -> x.assign(0, 1));
        missing("deleteSet(0) again", () -> x.deleteSet(0));
        due("there(3)", 4, () -> x.there(3));
        due("there(4)", 2, () -> x.there(4));
        due("deleteSet(2)", 1, () -> x.deleteSet(2));
        x.assign(0, 2);
        x.assign(0, 3);
        refused("the dynamic one still holds", () -> x.open(0, 12));
        due("deleteSet(1)", 0, () -> x.deleteSet(1));
        due("then it does not", 0, () -> x.open(0, 12));
    }

    private static void promise14() {
        promise = "promise 14, changeSet";
        RoleDesk x = new RoleDesk(2, 6, 0);
        x.addSet(0, 3, 2);
        x.addSet(1, 12, 2);
        missing("changeSet(2, 3, 2)", () -> x.changeSet(2, 3, 2));
        missing("changeSet(4, 3, 2)", () -> x.changeSet(4, 3, 2));
        missingFor("changeSet(_, 3, 2)", k -> x.changeSet(k, 3, 2));
        missing("changeSet(0, 64, 2)", () -> x.changeSet(0, 64 + 3, 2));
        missing("changeSet(0, -1, 2)", () -> x.changeSet(0, -1, 2));
        missing("missing roles come before a bad n", () -> x.changeSet(0, 64, 1));
        missing("a missing set comes before a bad n", () -> x.changeSet(2, 3, 1));
        outOfBounds("changeSet(0, 3, 1)", () -> x.changeSet(0, 3, 1));
        outOfBounds("changeSet(0, 3, 3)", () -> x.changeSet(0, 3, 3));
        outOfBounds("changeSet(0, 0, 2)", () -> x.changeSet(0, 0, 2));
        due("changeSet(0, 7, 3)", 3, () -> x.changeSet(0, 7, 3));
        due("assign(0, 0)", 1, () -> x.assign(0, 0));
        due("assign(0, 1), the old number is gone", 2, () -> x.assign(0, 1));
        refused("assign(0, 2)", () -> x.assign(0, 2));
        refused("changeSet(0, 3, 2) would be broken", () -> x.changeSet(0, 3, 2));
        outOfBounds("bounds come before broken", () -> x.changeSet(0, 3, 1));
        refused("a refused change leaves the set as it was", () -> x.assign(0, 2));
        due("changeSet(0, 6, 2)", 2, () -> x.changeSet(0, 6, 2));
        refused("assign(0, 2) by the new roles", () -> x.assign(0, 2));
        due("changeSet(0, 28, 2)", 3, () -> x.changeSet(0, 28, 2));
        due("assign(0, 2) then", 3, () -> x.assign(0, 2));

        x.open(0, 3);
        refused("dynamic: changeSet(1, 3, 2)", () -> x.changeSet(1, 3, 2));
        due("dynamic: authorised alone does not matter", 2, () -> x.changeSet(1, 6, 2));
        refused("dynamic: activate(0, 2)", () -> x.activate(0, 2));
        due("the kinds stay: there(3)", 1, () -> x.there(3));
        due("the kinds stay: there(4)", 2, () -> x.there(4));
        x.addSet(1, 48, 2);
        x.addSet(1, 48, 2);
        due("FULL does not matter", 3, () -> x.changeSet(1, 14, 3));
        due("activate(0, 2) then", 3, () -> x.activate(0, 2));
    }

    private static void promise15() {
        promise = "promise 15, open";
        RoleDesk x = new RoleDesk(3, 6, 0);
        x.inherit(0, 1);
        x.inherit(1, 2);
        x.assign(0, 0);
        x.assign(1, 3);
        due("open(0, 0) with no roles", 0, () -> x.open(0, 0));
        due("active(0)", 0, () -> x.active(0));
        due("open(0, 5)", 1, () -> x.open(0, 5));
        due("active(1)", 5, () -> x.active(1));
        due("sessionsOf(0)", 3, () -> x.sessionsOf(0));
        refused("open(0, 8)", () -> x.open(0, 8));
        refused("open(0, 9): one of them", () -> x.open(0, 9));
        refused("open(2, 1)", () -> x.open(2, 1));
        missing("open(3, 0)", () -> x.open(3, 0));
        missing("open(6, 0)", () -> x.open(6, 0));
        missingFor("open(_, 0)", u -> x.open(u, 0));
        missing("open(0, 64)", () -> x.open(0, 64));
        missing("open(0, 1024)", () -> x.open(0, 1024));
        missing("open(0, -1)", () -> x.open(0, -1));
        missing("open(0, MIN)", () -> x.open(0, Integer.MIN_VALUE));
        missing("missing comes before not authorised", () -> x.open(0, 64 + 8));
        x.deactivate(1, 2);
        x.addSet(1, 7, 2);
        refused("open(0, 6) would break a set", () -> x.open(0, 6));
        due("open(0, 4)", 2, () -> x.open(0, 4));
        due("open(1, 8)", 3, () -> x.open(1, 8));
        x.close(1);
        due("the least free number", 1, () -> x.open(2, 0));
        due("it is the new user's", 2, () -> x.sessionsOf(2));
        due("it has the new roles", 0, () -> x.active(1));
        due("open(2, 0)", 4, () -> x.open(2, 0));
        due("open(2, 0)", 5, () -> x.open(2, 0));
        refused("open(2, 0) when full", () -> x.open(2, 0));
        missing("missing comes before FULL", () -> x.open(3, 0));
        missing("missing roles come before FULL", () -> x.open(2, 64));

        RoleDesk y = new RoleDesk(1, 3, 0);
        y.assign(0, 0);
        y.assign(0, 1);
        y.assign(0, 2);
        y.addSet(1, 7, 3);
        due("two of three", 0, () -> y.open(0, 3));
        due("a set counts each session by itself", 1, () -> y.open(0, 6));
        refused("three of three", () -> y.open(0, 7));
    }

    private static void promise16() {
        promise = "promise 16, close";
        RoleDesk x = new RoleDesk(1, 2, 0);
        x.assign(0, 0);
        x.assign(0, 1);
        x.open(0, 3);
        x.open(0, 1);
        missing("close(2)", () -> x.close(2));
        missing("close(6)", () -> x.close(6));
        missingFor("close", x::close);
        due("close(0)", 1, () -> x.close(0));
        due("there(2)", 2, () -> x.there(2));
        due("sessionsOf(0)", 2, () -> x.sessionsOf(0));
        due("active(1)", 1, () -> x.active(1));
        missing("close(0) again", () -> x.close(0));
        due("what has ended breaks no set", 0, () -> x.addSet(1, 3, 2));
        due("close(1)", 0, () -> x.close(1));
        due("rolesOf(0, false)", 3, () -> x.rolesOf(0, false));
    }

    private static void promise17() {
        promise = "promise 17, activate";
        RoleDesk x = new RoleDesk(2, 6, 0);
        x.inherit(0, 1);
        x.assign(0, 0);
        x.assign(0, 2);
        x.assign(1, 3);
        x.open(0, 0);
        x.open(1, 0);
        due("activate(0, 1), a junior", 1, () -> x.activate(0, 1));
        due("activate(0, 0)", 2, () -> x.activate(0, 0));
        due("active(0)", 3, () -> x.active(0));
        due("active(1)", 0, () -> x.active(1));
        refused("activate(0, 0) again", () -> x.activate(0, 0));
        refused("activate(0, 3), another user's", () -> x.activate(0, 3));
        refused("activate(1, 0), another user's", () -> x.activate(1, 0));
        missing("activate(2, 0)", () -> x.activate(2, 0));
        missing("activate(0, 6)", () -> x.activate(0, 6));
        missingFor("activate(_, 0)", s -> x.activate(s, 0));
        missingFor("activate(0, _)", r -> x.activate(0, r));
        x.addSet(1, 7, 3);
        x.addSet(0, 24, 2);
        refused("activate(0, 2) would break a set", () -> x.activate(0, 2));
        x.deactivate(0, 0);
        due("activate(0, 2)", 2, () -> x.activate(0, 2));
        refused("activate(0, 0) then", () -> x.activate(0, 0));
        due("activate(1, 3)", 1, () -> x.activate(1, 3));
    }

    private static void promise18() {
        promise = "promise 18, deactivate";
        RoleDesk x = new RoleDesk(1, 4, 0);
        x.inherit(0, 1);
        x.assign(0, 0);
        x.open(0, 3);
        x.open(0, 1);
        refused("deactivate(1, 1)", () -> x.deactivate(1, 1));
        refused("deactivate(0, 2)", () -> x.deactivate(0, 2));
        missing("deactivate(2, 0)", () -> x.deactivate(2, 0));
        missing("deactivate(0, 4)", () -> x.deactivate(0, 4));
        missingFor("deactivate(_, 0)", s -> x.deactivate(s, 0));
        missingFor("deactivate(0, _)", r -> x.deactivate(0, r));
        due("deactivate(0, 0)", 1, () -> x.deactivate(0, 0));
        due("active(0)", 2, () -> x.active(0));
        due("active(1)", 1, () -> x.active(1));
        refused("deactivate(0, 0) again", () -> x.deactivate(0, 0));
        due("deactivate(0, 1)", 0, () -> x.deactivate(0, 1));
        due("the session goes on", 3, () -> x.there(2));
        due("rolesOf(0, false)", 1, () -> x.rolesOf(0, false));
    }

    private static void promise19() {
        promise = "promise 19, check";
        RoleDesk x = new RoleDesk(1, 5, 0);
        x.inherit(0, 1);
        x.inherit(1, 2);
        x.grant(0, 0);
        x.grant(1, 4);
        x.grant(2, 15);
        x.grant(3, 7);
        x.assign(0, 0);
        x.assign(0, 3);
        x.open(0, 2);
        due("check(0, 4)", true, x.check(0, 4));
        due("check(0, 15), by a junior that is not active", true, x.check(0, 15));
        due("check(0, 0), by a senior that is not active", false, x.check(0, 0));
        due("check(0, 7), by another that is not active", false, x.check(0, 7));
        due("check(0, 1), that nobody has", false, x.check(0, 1));
        x.activate(0, 3);
        due("check(0, 7) then", true, x.check(0, 7));
        x.disinherit(1, 2);
        due("check(0, 15) then", false, x.check(0, 15));
        x.revoke(1, 4);
        due("check(0, 4) then", false, x.check(0, 4));
        missing("check(1, 0)", () -> asInt(x.check(1, 0)));
        missing("check(6, 0)", () -> asInt(x.check(6, 0)));
        missingFor("check(_, 0)", s -> asInt(x.check(s, 0)));
        missingFor("check(0, _)", p -> asInt(x.check(0, p)));
        x.open(0, 0);
        due("a session without active roles", false, x.check(1, 7));
    }

    private static void promise20() {
        promise = "promise 20, rolesOf";
        RoleDesk x = new RoleDesk(2, 10, 0);
        x.inherit(0, 9);
        x.inherit(9, 4);
        x.inherit(5, 0);
        x.assign(0, 0);
        x.assign(0, 2);
        due("rolesOf(0, false)", 5, () -> x.rolesOf(0, false));
        due("rolesOf(0, true)", 5 + 512 + 16, () -> x.rolesOf(0, true));
        due("rolesOf(1, true)", 0, () -> x.rolesOf(1, true));
        missing("rolesOf(2, false)", () -> x.rolesOf(2, false));
        missing("rolesOf(6, true)", () -> x.rolesOf(6, true));
        missingFor("rolesOf(_, true)", u -> x.rolesOf(u, true));
        missingFor("rolesOf(_, false)", u -> x.rolesOf(u, false));
    }

    private static void promise21() {
        promise = "promise 21, usersOf";
        RoleDesk x = new RoleDesk(6, 8, 0);
        x.inherit(0, 1);
        x.inherit(1, 2);
        x.assign(5, 0);
        x.assign(3, 1);
        x.assign(0, 2);
        x.assign(5, 2);
        due("usersOf(2, false)", 33, () -> x.usersOf(2, false));
        due("usersOf(2, true)", 41, () -> x.usersOf(2, true));
        due("usersOf(1, true)", 40, () -> x.usersOf(1, true));
        due("usersOf(0, true)", 32, () -> x.usersOf(0, true));
        due("usersOf(7, true)", 0, () -> x.usersOf(7, true));
        missing("usersOf(8, false)", () -> x.usersOf(8, false));
        missing("usersOf(10, true)", () -> x.usersOf(10, true));
        missingFor("usersOf(_, true)", r -> x.usersOf(r, true));
        missingFor("usersOf(_, false)", r -> x.usersOf(r, false));
    }

    private static void promise22() {
        promise = "promise 22, permissions";
        RoleDesk x = new RoleDesk(1, 5, 0);
        x.inherit(3, 1);
        x.inherit(1, 0);
        x.grant(0, 15);
        x.grant(1, 0);
        x.grant(3, 0);
        x.grant(3, 2);
        x.grant(4, 6);
        due("permissions(3, false)", 5, () -> x.permissions(3, false));
        due("permissions(3, true)", 5 + (1 << 15), () -> x.permissions(3, true));
        due("permissions(0, true)", 1 << 15, () -> x.permissions(0, true));
        due("permissions(2, true)", 0, () -> x.permissions(2, true));
        missing("permissions(5, false)", () -> x.permissions(5, false));
        missing("permissions(10, true)", () -> x.permissions(10, true));
        missingFor("permissions(_, true)", r -> x.permissions(r, true));
        missingFor("permissions(_, false)", r -> x.permissions(r, false));
    }

    private static void promise23() {
        promise = "promise 23, juniors";
        RoleDesk x = new RoleDesk(1, 7, 0);
        x.inherit(4, 2);
        x.inherit(4, 5);
        x.inherit(2, 0);
        x.inherit(5, 0);
        x.inherit(6, 4);
        due("juniors(6)", 117, () -> x.juniors(6));
        due("juniors(4)", 53, () -> x.juniors(4));
        due("juniors(5)", 33, () -> x.juniors(5));
        due("juniors(0)", 1, () -> x.juniors(0));
        due("juniors(1)", 2, () -> x.juniors(1));
        missing("juniors(7)", () -> x.juniors(7));
        missing("juniors(10)", () -> x.juniors(10));
        missingFor("juniors", x::juniors);
    }

    private static void promise24() {
        promise = "promise 24, active";
        RoleDesk x = new RoleDesk(1, 4, 0);
        x.inherit(0, 1);
        x.assign(0, 0);
        x.assign(0, 3);
        x.open(0, 9);
        x.open(0, 0);
        due("active(0), without the juniors", 9, () -> x.active(0));
        due("active(1)", 0, () -> x.active(1));
        missing("active(2)", () -> x.active(2));
        missing("active(6)", () -> x.active(6));
        missingFor("active", x::active);
        x.close(0);
        missing("active(0) then", () -> x.active(0));
    }

    private static void promise25() {
        promise = "promise 25, sessionsOf";
        RoleDesk x = new RoleDesk(3, 0, 0);
        for (int u : new int[] {1, 0, 1, 0, 0, 1}) {
            x.open(u, 0);
        }
        due("sessionsOf(0)", 26, () -> x.sessionsOf(0));
        due("sessionsOf(1)", 37, () -> x.sessionsOf(1));
        due("sessionsOf(2)", 0, () -> x.sessionsOf(2));
        x.close(5);
        due("sessionsOf(1) then", 5, () -> x.sessionsOf(1));
        missing("sessionsOf(3)", () -> x.sessionsOf(3));
        missing("sessionsOf(6)", () -> x.sessionsOf(6));
        missingFor("sessionsOf", x::sessionsOf);
        x.deleteUser(0);
        missing("sessionsOf(0) then", () -> x.sessionsOf(0));
    }

    private static void promise26() {
        promise = "promise 26, there";
        RoleDesk x = new RoleDesk(4, 5, 0);
        x.deleteUser(1);
        x.deleteRole(3);
        x.open(0, 0);
        x.open(2, 0);
        x.open(3, 0);
        x.close(1);
        x.addSet(1, 3, 2);
        x.addSet(0, 3, 2);
        x.addSet(1, 3, 2);
        x.addSet(0, 3, 2);
        due("there(0)", 13, () -> x.there(0));
        due("there(1)", 23, () -> x.there(1));
        due("there(2)", 5, () -> x.there(2));
        due("there(3)", 10, () -> x.there(3));
        due("there(4)", 5, () -> x.there(4));
        for (int what : new int[] {5, 6, -1, 32, 33, 256, Integer.MIN_VALUE, Integer.MAX_VALUE}) {
            due("there(" + what + ")", 0, () -> x.there(what));
        }
    }

    /** A desk with something of everything: users and roles are not full, sessions and sets are. */
    private static RoleDesk busyDesk() {
        RoleDesk x = new RoleDesk(3, 8, 0);
        x.inherit(0, 1);
        x.inherit(1, 2);
        x.grant(2, 5);
        x.assign(0, 0);
        x.assign(0, 3);
        x.assign(1, 4);
        x.open(0, 7);
        x.open(0, 8);
        x.open(1, 16);
        x.open(1, 0);
        x.open(2, 0);
        x.open(2, 0);
        x.addSet(0, 20, 2);
        x.addSet(1, 9, 2);
        x.addSet(0, 192, 2);
        x.addSet(1, 224, 3);
        return x;
    }

    private static Map<String, ToIntFunction<RoleDesk>> callsThatThrow() {
        Map<String, ToIntFunction<RoleDesk>> calls = new LinkedHashMap<>();
        calls.put("deleteUser(3)", x -> x.deleteUser(3));
        calls.put("deleteRole(8)", x -> x.deleteRole(8));
        calls.put("assign(0, 0)", x -> x.assign(0, 0));
        calls.put("assign(0, 4)", x -> x.assign(0, 4));
        calls.put("assign(0, 8)", x -> x.assign(0, 8));
        calls.put("deassign(0, 1)", x -> x.deassign(0, 1));
        calls.put("deassign(3, 0)", x -> x.deassign(3, 0));
        calls.put("grant(2, 5)", x -> x.grant(2, 5));
        calls.put("grant(2, 16)", x -> x.grant(2, 16));
        calls.put("revoke(0, 5)", x -> x.revoke(0, 5));
        calls.put("revoke(0, 37)", x -> x.revoke(0, 37));
        calls.put("inherit(0, 1)", x -> x.inherit(0, 1));
        calls.put("inherit(2, 0)", x -> x.inherit(2, 0));
        calls.put("inherit(3, 4)", x -> x.inherit(3, 4));
        calls.put("inherit(3, 8)", x -> x.inherit(3, 8));
        calls.put("disinherit(0, 2)", x -> x.disinherit(0, 2));
        calls.put("disinherit(8, 0)", x -> x.disinherit(8, 0));
        calls.put("addSet(0, 192, 2)", x -> x.addSet(0, 192, 2));
        calls.put("addSet(0, 192, 3)", x -> x.addSet(0, 192, 3));
        calls.put("addSet(0, 256, 2)", x -> x.addSet(0, 256, 2));
        calls.put("deleteSet(4)", x -> x.deleteSet(4));
        calls.put("changeSet(0, 7, 2)", x -> x.changeSet(0, 7, 2));
        calls.put("changeSet(1, 3, 2)", x -> x.changeSet(1, 3, 2));
        calls.put("changeSet(0, 96, 3)", x -> x.changeSet(0, 96, 3));
        calls.put("changeSet(0, 352, 2)", x -> x.changeSet(0, 352, 2));
        calls.put("open(0, 1)", x -> x.open(0, 1));
        calls.put("open(0, 9)", x -> x.open(0, 9));
        calls.put("open(3, 0)", x -> x.open(3, 0));
        calls.put("close(6)", x -> x.close(6));
        calls.put("activate(0, 0)", x -> x.activate(0, 0));
        calls.put("activate(0, 3)", x -> x.activate(0, 3));
        calls.put("activate(0, 4)", x -> x.activate(0, 4));
        calls.put("activate(0, 8)", x -> x.activate(0, 8));
        calls.put("deactivate(0, 3)", x -> x.deactivate(0, 3));
        calls.put("deactivate(0, 8)", x -> x.deactivate(0, 8));
        calls.put("check(0, 16)", x -> asInt(x.check(0, 16)));
        calls.put("juniors(8)", x -> x.juniors(8));
        return calls;
    }

    /** All of the state that the calls without effect tell. */
    private static String seen(RoleDesk x) {
        StringBuilder text = new StringBuilder();
        for (int what = 0; what < 5; what++) {
            text.append(x.there(what)).append(' ');
        }
        each(x.there(0), u -> text.append('u').append(u).append(':').append(x.rolesOf(u, false))
                .append(',').append(x.rolesOf(u, true)).append(',').append(x.sessionsOf(u)).append(' '));
        each(x.there(1), r -> text.append('r').append(r).append(':').append(x.permissions(r, false))
                .append(',').append(x.permissions(r, true)).append(',').append(x.juniors(r)).append(' '));
        each(x.there(2), s -> text.append('s').append(s).append(':').append(x.active(s)).append(' '));
        return text.toString();
    }

    /** What a set holds is told only by what it refuses, so this tries, and uses the desk up. */
    private static String setsTried(RoleDesk x) {
        StringBuilder text = new StringBuilder();
        each(x.there(0), x::deleteUser);
        x.addUser();
        each(x.there(1), r -> text.append(tried(() -> x.assign(0, r))));
        x.open(0, 0);
        each(x.there(1), r -> text.append(tried(() -> x.activate(0, r))));
        each(x.there(1), r -> text.append(tried(() -> x.deassign(0, 7 - r)))
                .append(tried(() -> x.assign(0, 7 - r))).append(tried(() -> x.activate(0, 7 - r))));
        return text.toString();
    }

    private static char tried(IntSupplier call) {
        try {
            call.getAsInt();
            return 'y';
        } catch (IllegalStateException e) {
            return 'n';
        }
    }

    private static void throwingChangesNothing() {
        promise = "terms, a call that throws changes nothing";
        RoleDesk same = busyDesk();
        String seenBefore = seen(same);
        String triedBefore = setsTried(same);
        callsThatThrow().forEach((call, run) -> {
            RoleDesk x = busyDesk();
            try {
                fail(call + " answered " + run.applyAsInt(x) + ", an exception is due");
            } catch (RuntimeException e) {
                due("after " + call + " the desk is the same", true, seenBefore.equals(seen(x)));
                due("after " + call + " the sets are the same", true, triedBefore.equals(setsTried(x)));
            }
        });
    }

    private static void numbersFreedByThrowing() {
        promise = "terms, a refused call takes no number";
        RoleDesk x = new RoleDesk(1, 3, 0);
        x.assign(0, 0);
        x.assign(0, 1);
        refused("open(0, 4)", () -> x.open(0, 4));
        due("open(0, 3)", 0, () -> x.open(0, 3));
        refused("addSet(0, 3, 2)", () -> x.addSet(0, 3, 2));
        refused("addSet(1, 3, 2)", () -> x.addSet(1, 3, 2));
        due("addSet(0, 6, 2)", 0, () -> x.addSet(0, 6, 2));
    }

    /** The highest numbers are treated as all others are. */
    private static RoleDesk deskOfTheLast() {
        RoleDesk x = new RoleDesk(6, 10, 0);
        for (int i = 0; i < 5; i++) {
            x.open(0, 0);
        }
        x.inherit(9, 8);
        x.assign(5, 9);
        x.assign(5, 7);
        x.open(5, 512 + 256 + 128);
        x.addSet(0, 3, 2);
        x.addSet(0, 3, 2);
        x.addSet(0, 3, 2);
        return x;
    }

    private static void theLastOfEach() {
        promise = "terms, the last of each kind";
        RoleDesk sets = deskOfTheLast();
        refused("addSet(0, 768, 2)", () -> sets.addSet(0, 768, 2));
        refused("addSet(1, 384, 2)", () -> sets.addSet(1, 384, 2));
        due("addSet(0, 128 + 64, 2)", 3, () -> sets.addSet(0, 128 + 64, 2));
        refused("assign(5, 6)", () -> sets.assign(5, 6));
        refused("inherit(8, 6)", () -> sets.inherit(8, 6));
        due("deleteSet(3)", 3, () -> sets.deleteSet(3));
        due("assign(5, 6) then", 3, () -> sets.assign(5, 6));

        RoleDesk session = deskOfTheLast();
        due("deassign(5, 9)", 1, () -> session.deassign(5, 9));
        due("active(5)", 128, () -> session.active(5));
        due("deleteUser(5)", 1, () -> session.deleteUser(5));
        due("there(2)", 31, () -> session.there(2));

        RoleDesk roles = deskOfTheLast();
        due("deleteRole(8)", 0, () -> roles.deleteRole(8));
        due("juniors(9)", 512, () -> roles.juniors(9));
        due("deleteRole(7)", 0, () -> roles.deleteRole(7));
        due("rolesOf(5, false)", 512, () -> roles.rolesOf(5, false));
        due("active(5) then", 512, () -> roles.active(5));
        due("deleteRole(9)", 0, () -> roles.deleteRole(9));
        due("rolesOf(5, true)", 0, () -> roles.rolesOf(5, true));
    }

    public static void main(String[] args) {
        promise1();
        promise2();
        promise3();
        promise4();
        promise5();
        promise6();
        promise7();
        promise8();
        promise9();
        promise10();
        inheritanceIsDeep();
        promise11();
        promise12();
        promise13();
        promise14();
        promise15();
        promise16();
        promise17();
        promise18();
        promise19();
        promise20();
        promise21();
        promise22();
        promise23();
        promise24();
        promise25();
        promise26();
        throwingChangesNothing();
        numbersFreedByThrowing();
        theLastOfEach();
        System.out.println(wrong == 0 ? "all promises hold" : wrong + " answers are not as due");
        if (wrong != 0) {
            System.exit(1);
        }
    }
}
