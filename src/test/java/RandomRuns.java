import java.lang.reflect.Method;
import java.util.ArrayList;
import java.util.Arrays;
import java.util.HashMap;
import java.util.List;
import java.util.Map;
import java.util.Random;

/** Sets OneWindow against Model over runs of 512 calls, drawn from seeds that are told. */
public final class RandomRuns {
    private static final int CALLS = 512;
    private static final Map<String, Method> OURS = new HashMap<>();
    private static final Map<String, Method> THEIRS = new HashMap<>();

    private final Random draw;
    private final OneWindow ours = new OneWindow();
    private final Model theirs = new Model();
    private final List<String> history = new ArrayList<>();
    private boolean failed;

    private RandomRuns(long seed) {
        draw = new Random(seed);
    }

    public static void main(String[] args) throws Exception {
        int runs = args.length > 0 ? Integer.parseInt(args[0]) : 3000;
        for (Method m : OneWindow.class.getDeclaredMethods()) {
            if (java.lang.reflect.Modifier.isPublic(m.getModifiers())) {
                OURS.put(m.getName(), m);
                THEIRS.put(m.getName(), Model.class.getMethod(m.getName(), m.getParameterTypes()));
            }
        }
        int failed = 0;
        for (int seed = 0; seed < runs; seed++) {
            RandomRuns run = new RandomRuns(seed);
            run.play(seed % 6);
            if (run.failed) {
                failed++;
                int from = Math.max(0, run.history.size() - 12);
                System.out.println("seed " + seed + ", call " + run.history.size() + ":");
                run.history.subList(from, run.history.size()).forEach(System.out::println);
                if (failed == 3) {
                    break;
                }
            }
        }
        System.out.println("RandomRuns: " + (runs - failed) + " passed, " + failed + " failed");
        System.exit(failed == 0 ? 0 : 1);
    }

    private int call(String name, Object... args) throws Exception {
        if (failed || history.size() >= CALLS) {
            return 0;
        }
        int due = (Integer) THEIRS.get(name).invoke(theirs, args);
        int got = (Integer) OURS.get(name).invoke(ours, args);
        history.add(name + Arrays.toString(args) + " answered " + got + ", due is " + due);
        failed = got != due;
        return due;
    }

    private void play(int style) throws Exception {
        if (style != 0) {
            furnish(style);
        }
        if (style == 1) {
            for (int i = 0; i < 97; i++) {
                call("nights", 100);
            }
        }
        while (!failed && history.size() < CALLS) {
            int die = draw.nextInt(100);
            if (die < 6) {
                writeText();
            } else if (die < 8) {
                tellTruly();
            } else if (die < 10) {
                drawLight();
            } else if (die < 13) {
                drawCells();
            } else {
                anyCall();
            }
        }
    }

    private void furnish(int style) throws Exception {
        for (int i = 0; i < 12; i++) {
            call("cell", draw.nextInt(36), style == 2 ? 0 : 1 + draw.nextInt(3));
        }
        for (int i = 0; i < 6; i++) {
            call("window", draw.nextInt(70), draw.nextInt(36));
        }
        for (int i = 0; i < 10; i++) {
            call("person", draw.nextInt(36), 1 + draw.nextInt(style == 3 ? 20 : 6));
        }
        for (int i = 0; i < 7; i++) {
            call("turn", draw.nextInt(6));
        }
        for (int i = 0; style == 1 && i < 10; i++) {
            call("change", i, 0, theirs.w.panes.get(i % 2).cell);
            call("change", i, 2, 9999);
        }
        if (style == 1) {
            call("set", 1, 9);
        }
    }

    private int in(int low, int high) {
        int die = draw.nextInt(40);
        if (die == 0) {
            return low - 1;
        }
        if (die == 1) {
            return high + 1;
        }
        if (die == 2) {
            return new int[] {Integer.MIN_VALUE, Integer.MAX_VALUE, -1, low, high, draw.nextInt()}[draw.nextInt(6)];
        }
        return low + draw.nextInt(high - low + 1);
    }

    private int number() {
        return draw.nextInt(3) == 0 ? draw.nextInt() : draw.nextInt(41) - 20;
    }

    private int aWindow() {
        return in(0, Math.max(0, theirs.w.panes.size() - 1));
    }

    private int aPerson() {
        return in(0, Math.max(0, theirs.w.humans.size() - 1));
    }

    private int aBitness() {
        return new int[] {0, 8, 8, 8, 16, 16, 32, 32, 7, -8}[draw.nextInt(10)];
    }

    private void anyCall() throws Exception {
        String[] names = {"cell", "cell", "set", "window", "ofWindow", "ofWindow", "become", "as", "light", "light",
            "person", "ofPerson", "ofPerson", "change", "change", "met", "met", "turn", "clear", "lit", "feed", "text",
            "law", "nights", "loose", "then", "then", "thenEggs", "order", "seat", "seat", "curtain", "curtain",
            "mirrors", "whose", "seed", "voice", "voice", "trace", "trace", "sheet", "put", "put", "move", "move",
            "cells", "judge", "image", "restore", "tell", "check", "count", "count", "told"};
        String name = names[draw.nextInt(names.length)];
        boolean rare = name.equals("clear") || name.equals("restore") || name.equals("order") || name.equals("mirrors");
        if (!rare || draw.nextInt(3) == 0) {
            call(name, argumentsOf(name));
        }
    }

    private Object[] argumentsOf(String name) {
        switch (name) {
            case "cell": return of(in(0, 35), in(0, 3));
            case "set": return of(in(0, 1), draw.nextBoolean() ? in(0, 2) : in(0, 9));
            case "window": return of(in(0, 69), in(0, 35));
            case "ofWindow": return of(aWindow(), in(0, 6));
            case "become": return of(aWindow(), in(0, 69));
            case "as": return of(aWindow(), in(0, 6));
            case "light": return of(aWindow(), in(0, 35));
            case "person": return of(in(0, 35), in(1, 20));
            case "ofPerson": return of(aPerson(), in(0, 4));
            case "change": return changeArguments();
            case "met": case "turn": case "seat": return of(aWindow());
            case "feed": return new Object[] {draw.nextLong(), in(1, 8)};
            case "text": return of(in(0, 1));
            case "law": return of(in(0, 1), number(), number(), number(), number());
            case "nights": case "loose": return of(draw.nextBoolean() ? in(1, 3) : in(1, 100));
            case "then": return of(in(0, 100), aPerson(), in(0, 4));
            case "thenEggs": return of(in(0, 100), aWindow());
            case "order": return of(in(-1, 5));
            case "curtain": return of(aWindow(), in(0, 35));
            case "mirrors": return of(aWindow(), in(0, 35), draw.nextInt(5) == 0 ? in(1, 99) : in(1, 8), in(0, 4));
            case "whose": return of(aSet());
            case "seed": return of(number());
            case "voice": return of(aWindow(), in(0, 3), number());
            case "trace": return of(in(0, 8));
            case "sheet": return of(in(0, 3), aBitness(), in(0, 40));
            case "put": return of(in(0, 3), in(0, 20), draw.nextBoolean() ? in(0, 3) : number());
            case "move": return of(in(0, 3), in(0, 9), in(0, 3), in(0, 9), in(0, 12));
            case "cells": return of(in(0, 3));
            case "judge": return of(in(0, 3), aWindow());
            case "tell": return of(in(0, 9));
            case "count": return of(in(0, 10));
            case "told": return of(in(1, 5));
            default: return of();
        }
    }

    private Object[] changeArguments() {
        switch (in(0, 2)) {
            case 0: return of(aPerson(), 0, in(0, 35));
            case 1: return of(aPerson(), 1, in(1, 20));
            case 2: return of(aPerson(), 2, draw.nextBoolean() ? in(0, 9999) : in(0, 9));
            default: return of(aPerson(), in(3, 4), in(0, 9));
        }
    }

    private int aSet() {
        int panes = theirs.w.panes.size();
        if (panes > 0 && draw.nextBoolean()) {
            return Model.met(theirs.w, draw.nextInt(panes), theirs.w.night);
        }
        return in(0, (1 << theirs.w.humans.size()) - 1);
    }

    private static Object[] of(int... args) {
        return Arrays.stream(args).boxed().toArray();
    }

    private void tellTruly() throws Exception {
        call("check");
        int n = draw.nextInt(5);
        for (int i = 1; i <= n; i++) {
            call("tell", Model.reads(theirs.ahead(i)) + (draw.nextInt(12) == 0 ? 1 : 0));
        }
        call("check");
    }

    private void drawLight() throws Exception {
        int panes = theirs.w.panes.size();
        if (panes == 0) {
            return;
        }
        int window = draw.nextInt(panes);
        int[] light = Model.light(theirs.w, window, theirs.w.night);
        int n = draw.nextInt(41);
        call("sheet", 1, 16, n);
        for (int i = 0; i < Math.min(n, 36); i++) {
            if (light[i] != 0) {
                call("put", 1, i, light[i]);
            }
        }
        if (n > 0 && draw.nextBoolean()) {
            call("put", 1, draw.nextInt(n), draw.nextInt(9));
        }
        call("judge", 1, window);
    }

    private void drawCells() throws Exception {
        int n = draw.nextInt(41);
        call("sheet", 2, 32, n);
        for (int i = 0; i < 9 && n > 0; i++) {
            call("put", 2, draw.nextInt(n), in(1, 3));
        }
        call("cells", 2);
    }

    private void writeText() throws Exception {
        call("clear");
        call("text", 0);
        int use = draw.nextInt(2);
        String text = draw.nextInt(4) == 0 ? modest(use) : term(use, 0, 4);
        if (draw.nextInt(3) == 0 && text.length() > 0) {
            int i = draw.nextInt(text.length());
            String bytes = "fdlsnert0123456789|&<=>+-*/%!() \u00ff";
            String other = draw.nextInt(3) == 0 ? "" : "" + bytes.charAt(draw.nextInt(bytes.length()));
            text = text.substring(0, i) + other + text.substring(i + draw.nextInt(2));
        }
        if (text.length() > 50) {
            text = text.substring(0, 50);
        }
        int from = 0;
        while (from < text.length() && !failed && history.size() < CALLS) {
            int n = Math.min(1 + draw.nextInt(8), text.length() - from);
            long word = draw.nextLong();
            for (int i = 0; i < n; i++) {
                word = word & ~(255L << 8 * i) | (long) text.charAt(from + i) << 8 * i;
            }
            call("feed", word, n);
            from += n;
        }
        call("text", use);
        call("law", use, number(), number(), number(), number());
        for (int i = 0; i < 3 && !theirs.w.panes.isEmpty(); i++) {
            call("turn", draw.nextInt(theirs.w.panes.size()));
        }
    }

    /** A law with which light still goes somewhere. */
    private String modest(int use) {
        String[] fades = {"d+f", "d", "1+s/2", "l/4", "d+(s>3)*2", "f*2+!s", "1+s%2"};
        String[] wants = {"n", "n+r%3", "n-e/9", "n*!(t%2)", "n+(e<3)*5", "1+t%7", "r>2|n"};
        String[] laws = use == 0 ? fades : wants;
        return laws[draw.nextInt(laws.length)];
    }

    private String term(int use, int open, int rich) {
        StringBuilder b = new StringBuilder(operand(use, open, rich));
        int joined = draw.nextInt(rich + 1);
        for (int i = 0; i < joined; i++) {
            b.append("|&<=>+-*/%+-*/%".charAt(draw.nextInt(15))).append(operand(use, open, rich - 1));
        }
        return b.toString();
    }

    private String operand(int use, int open, int rich) {
        int die = draw.nextInt(10);
        if (die < 4) {
            return "" + (use == 0 ? "fdls" : "nert").charAt(draw.nextInt(4));
        }
        if (die < 7 || open > 5 || rich <= 0) {
            int number = draw.nextInt(draw.nextBoolean() ? 10 : 12000);
            return draw.nextInt(9) == 0 ? "00" + number : "" + number;
        }
        return die < 8 ? "!" + operand(use, open + 1, rich) : "(" + term(use, open + 1, rich - 1) + ")";
    }
}
