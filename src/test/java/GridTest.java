import java.lang.reflect.InvocationTargetException;
import java.lang.reflect.Method;
import java.lang.reflect.Modifier;
import java.util.ArrayList;
import java.util.Arrays;
import java.util.HashMap;
import java.util.List;
import java.util.Map;
import java.util.Set;

/**
 * Every call with all its numbers at and beyond their edges at once, on a new, a common and a full object,
 * against Naive: which of several exceptions is thrown, and that what is refused changes nothing.
 */
public final class GridTest {
  private static final int LOW = Integer.MIN_VALUE;
  private static final int HIGH = Integer.MAX_VALUE;
  private static final int MOST_CALLS = 512;

  private static final String[] CALLS = {
    "leaf book lines cells front worms", "sheets book sheets", "light light measure measure",
    "image leaf line cell light value", "unmix leaf line cell flag", "give scholar leaf line cell letter weight",
    "type letter", "word", "work", "weight leaf line layer", "readings leaf line layer", "letter leaf line cell layer",
    "fact kind leaf other flag", "hold fact flag", "arrangements book flag", "places leaf flag", "joined leaf leaf",
    "hand leaf number number number haste", "handOf leaf", "date leaf spans", "dates leaf",
    "match work leaf line layer flag", "edition book place", "state leaf line cell layer", "rests leaf", "worth",
  };

  private static final Set<String> ASKING = Set.of("unmix", "weight", "readings", "letter", "arrangements", "places",
      "joined", "handOf", "dates", "match", "edition", "state", "rests", "worth");

  private static final String[] QUESTIONS = {
    "arrangements 0 0", "places 0 1", "rests 1", "joined 0 2", "edition 1 0", "weight 0 0 7", "readings 1 0 3",
    "letter 1 0 1 7", "state 1 0 0 1", "match 0 0 0 7 1", "unmix 1 0 1 1", "handOf 2", "dates 1", "arrangements 1 1",
  };

  private static final String[] COMMON = {
    "leaf 0 1 2 0 1", "leaf 1 2 3 -1 3", "leaf 0 1 1 1 1", "leaf 1 4 8 -1 0", "sheets 0 2", "light 1 2 3",
    "image 1 0 1 0 18", "image 3 3 7 2 0", "image 0 0 0 0 0", "type 3", "word", "type 0", "type 3", "word", "type 25", "word",
    "type 3", "type 3", "type 0", "work", "type 25", "work", "give 0 0 0 1 3 9", "give 0 0 0 1 0 1", "give 2 1 0 0 25 4",
    "give 1 1 1 2 3 5", "fact 2 0 2 1", "fact 3 1 7 0", "fact 0 1 3 1", "hold 1 0", "hand 1 20 0 0 0", "hand 2 6 0 0 0",
    "date 0 4095", "date 1 6", "date 1 3", "date 1 2", "type 3",
  };

  private final Due due;
  private final String name;
  private final List<String> past;
  private Undertext x;
  private Naive y;
  private int used = 0;
  private int questions = 0;

  private GridTest(Due due, String name, List<String> past) {
    this.due = due;
    this.name = name;
    this.past = past;
    anew();
  }

  public static void main(String[] args) {
    Due due = new Due("GridTest");
    new GridTest(due, "new", List.of()).ask();
    new GridTest(due, "common", Arrays.asList(COMMON)).ask();
    new GridTest(due, "full", full()).ask();
    due.end();
  }

  /** As many of everything as there can be. */
  private static List<String> full() {
    List<String> past = new ArrayList<>(List.of("sheets 0 3", "sheets 1 2"));
    for (int leaf = 0; leaf < 10; leaf++) past.add("leaf " + (leaf < 8 ? leaf % 2 : 0) + " 1 2 -1 " + (leaf == 3 ? 255 : 0));
    for (int word = 0; word < 12; word++) past.addAll(List.of("type " + 2 * word, "word"));
    for (int work = 0; work < 4; work++) past.addAll(List.of("type " + work, "work"));
    for (int i = 0; i < 40; i++) past.add("type 3");
    for (int fact = 0; fact < 12; fact++) past.add("fact 2 " + fact % 4 + " " + (fact % 4 + 4) + " " + fact % 2);
    for (int i = 0; i < 4; i++) past.addAll(List.of("date 0 " + (4095 - (1 << i)), "date 9 7"));
    for (int letter = 0; letter < 3; letter++) past.add("give 0 0 0 0 " + letter + " 9");
    return past;
  }

  private void ask() {
    for (String call : CALLS) {
      String[] words = call.split(" ");
      tryAll(words[0], words, 1, new int[words.length - 1]);
    }
  }

  private void anew() {
    x = new Undertext();
    y = new Naive();
    for (String each : past) {
      String[] words = each.split(" ");
      int[] numbers = new int[words.length - 1];
      for (int i = 0; i < numbers.length; i++) numbers[i] = Integer.parseInt(words[i + 1]);
      due.compare(answer(y, words[0], numbers), name + ": " + each, answer(x, words[0], numbers));
    }
    used = past.size();
  }

  /** Numbers from a parameter on are put in all ways. */
  private void tryAll(String call, String[] parameters, int from, int[] numbers) {
    if (from == parameters.length) {
      ask(call, numbers);
      return;
    }
    for (int each : valuesOf(parameters[from])) {
      numbers[from - 1] = each;
      tryAll(call, parameters, from + 1, numbers);
    }
  }

  /** What is refused, and a question, leaves the object as it was; after another call it is made anew. */
  private void ask(String call, int[] numbers) {
    String answer = both(call, numbers);
    boolean isSame = answer.startsWith("throws.") || ASKING.contains(call);
    if (!isSame || used > MOST_CALLS - 2) {
      anew();
      return;
    }
    String[] words = QUESTIONS[questions++ % QUESTIONS.length].split(" ");
    int[] asked = new int[words.length - 1];
    for (int i = 0; i < asked.length; i++) asked[i] = Integer.parseInt(words[i + 1]);
    both(words[0], asked);
  }

  private String both(String call, int[] numbers) {
    used++;
    String answer = answer(x, call, numbers);
    due.compare(answer(y, call, numbers), name + ": " + call + " " + Arrays.toString(numbers), answer);
    return answer;
  }

  private static final Map<Class<?>, Map<String, Method>> METHODS = new HashMap<>();

  private static Method methodOf(Object house, String call) {
    Map<String, Method> methods = METHODS.computeIfAbsent(house.getClass(), type -> new HashMap<>());
    return methods.computeIfAbsent(call, name -> {
      for (Method each : house.getClass().getDeclaredMethods()) {
        if (each.getName().equals(name) && !Modifier.isPrivate(each.getModifiers())) return each;
      }
      throw new IllegalStateException("no call " + name);
    });
  }

  private static String answer(Object house, String call, int[] numbers) {
    Method method = methodOf(house, call);
    Class<?>[] types = method.getParameterTypes();
    Object[] arguments = new Object[numbers.length];
    for (int i = 0; i < arguments.length; i++) {
      if (types[i] == boolean.class) arguments[i] = numbers[i] == 1;
      else arguments[i] = numbers[i];
    }
    try {
      return String.valueOf(method.invoke(house, arguments));
    } catch (InvocationTargetException thrown) {
      return "throws." + thrown.getCause().getClass().getSimpleName();
    } catch (IllegalAccessException hidden) {
      return "hidden";
    }
  }

  private static int[] valuesOf(String parameter) {
    switch (parameter) {
      case "book": return new int[] {LOW, -1, 0, 1, 2, HIGH};
      case "lines": return new int[] {LOW, 0, 1, 4, 5};
      case "cells": return new int[] {0, 1, 8, 9, HIGH};
      case "front": return new int[] {-2, -1, 0, 1, 2};
      case "worms": return new int[] {-1, 0, 255, 256};
      case "sheets": return new int[] {LOW, 0, 1, 2, 3, 4, 5, HIGH};
      case "light": return new int[] {-1, 0, 2, 3};
      case "measure": return new int[] {LOW, -1, 0, 9, 10};
      case "leaf": return new int[] {LOW, -1, 0, 1, 3, 4, 9, 10, HIGH};
      case "line": return new int[] {-1, 0, 1, 4};
      case "cell": return new int[] {-1, 0, 1, 8};
      case "value": return new int[] {LOW, -2, -1, 0, 18, 162, 163};
      case "flag": return new int[] {0, 1};
      case "scholar": return new int[] {-1, 0, 2, 3};
      case "letter": return new int[] {-1, 0, 3, 25, 26};
      case "weight": return new int[] {-1, 0, 1, 9, 10};
      case "layer": return new int[] {-1, 0, 1, 7, 8};
      case "kind": return new int[] {-1, 0, 1, 2, 3, 4, 5};
      case "other": return new int[] {-1, 0, 1, 2, 3, 4, 5, 7, 8, 9, 10, HIGH};
      case "fact": return new int[] {LOW, -1, 0, 1, 3, 11, 12, HIGH};
      case "number": return new int[] {-1, 0, 20, 21};
      case "haste": return new int[] {-1, 0, 3, 4};
      case "spans": return new int[] {LOW, -1, 0, 1, 4095, 4096};
      case "work": return new int[] {LOW, -1, 0, 1, 2, 3, 4};
      case "place": return new int[] {-1, 0, 3, 4, 5, 6, 7, 8};
      default: throw new IllegalStateException("no parameter " + parameter);
    }
  }
}
